"""Makes modules that are mostly right: code is put together along the types that come to it."""
import random
from model import *
def tb(t):
    if t is None: return [255]
    return list(t)
def joined(a,b):
    """The join of two (stack, locals), or None when they clash."""
    if len(a[0])!=len(b[0]): return None
    S=[];L=[]
    for x,y in zip(a[0],b[0]):
        if fits(x,y): S.append(y)
        elif fits(y,x): S.append(x)
        else: return None
    for x,y in zip(a[1],b[1]):
        if fits(x,y): L.append(y)
        elif fits(y,x): L.append(x)
        elif lin(x) or lin(y): return None
        else: L.append(EMPTY)
    return S,L
class Gen:
    def __init__(s,rnd): s.r=rnd
    def skeleton(s):
        r=s.r
        s.recs=[]
        nr=r.randint(1,5)
        kinds=[r.random()<.5 for _ in range(nr)]; kinds[0]=True
        for k in kinds:
            n=r.randint(1,6 if r.random()<.3 else 3)
            s.recs.append([INT]*n if k else [r.choice([INT,(1,r.randrange(nr)),(1,r.randrange(nr)),(2,),(3,r.randrange(nr))]) for _ in range(n)])
        s.brecs=[i for i in range(nr) if all(t==INT for t in s.recs[i])]
        nc=r.randint(0,3); ns=[r.randint(1,5) for _ in range(nc)]
        s.cons=[]
        for c in range(nc):
            st=[]
            for i in range(ns[c]):
                turn=r.choice([0,1,1,2,2]) if i>0 else r.choice([1,1,2])
                ms=[]
                if turn:
                    for _ in range(r.randint(1,r.choice([1,2,4]))):
                        ld=r.choice([None,None,INT,'b','e'])
                        if ld=='b': ld=(4,r.choice(s.brecs))
                        if ld=='e':
                            c2=r.randrange(nc); ld=(5,c2,r.randrange(ns[c2]),r.randint(0,1))
                        ms.append((ld,r.randrange(ns[c])))
                st.append((turn,ms))
            s.cons.append(st)
        nf=r.randint(1,5)
        s.sigs=[]
        for i in range(nf):
            ps=[s.ptype() for _ in range(r.choice([0,0,1,1,2,3,4]))]
            if i==0 or r.random()<.4: ps=[t if t==INT or t[0]==5 else INT for t in ps]; ps=[(5,t[1],0,t[3]) if t[0]==5 else t for t in ps]
            res=None if r.random()<.6 or i==0 else s.ptype()
            s.sigs.append((ps,res,r.randint(len(ps),min(10,len(ps)+r.choice([0,2,4,10])))))
    def ptype(s):
        r=s.r; k=r.choice([0,0,0,1,2,3,4,5,5,5])
        if k in(0,2): return (k,)
        if k in(1,3): return (k,r.randrange(len(s.recs)))
        if k==4: return (4,r.choice(s.brecs))
        if not s.cons: return INT
        c=r.randrange(len(s.cons)); return (5,c,r.choice([0,0,r.randrange(len(s.cons[c]))]),r.randint(0,1))
    def val(s,t,code,S):  # emit to produce a value of type t if simple
        r=s.r
        if t==INT:
            code+=[0]+s.k(); S.append(INT); return True
        if ptr(t):
            if r.random()<.4: code.append(1); S.append(NIL)
            elif t[0]==1: code+=[22,t[1]]; S.append(t)
            elif t[0]==2: code+=[0,0,0,0,r.randint(0,9),25]; S.append(t)
            else: code+=[0,0,0,0,r.randint(0,9),26,t[1]]; S.append(t)
            return True
        if t[0]==4: code+=[32,t[1]]; S.append(t); return True
        return False
    def k(s):
        r=s.r; v=r.choice([0,1,2,3,r.randint(-3,20),r.randint(-2**31,2**31-1),-1,-2**31,2**31-1,31,32])
        v&=0xffffffff
        return [v>>24,(v>>16)&255,(v>>8)&255,v&255]
    def fn(s,i):
        r=s.r; ps,res,nl=s.sigs[i]
        code=[]; S=[]; L=list(ps)+[EMPTY]*(nl-len(ps)); marks=[]; pend=[]
        limit=r.choice([20,60,120,200])
        lastmark=-1
        alive=True
        while True:
            if not alive:
                if not pend: break
                at,S0,L0=pend.pop(r.randrange(len(pend))); S=list(S0); L=list(L0); code[at]=len(code); alive=True
            if len(code)>limit:
                # finish
                if any(map(lin,L)) or r.random()<.2 or len(code)>215: code.append(42); alive=False; 
                else:
                    while S and not lin(S[-1]): S.pop(); code.append(4)
                    if S: code.append(42)
                    elif res is None: code.append(31)
                    elif s.val(res,code,S): code.append(31)
                    else: code.append(42)
                    alive=False
                if len(code)>225:
                    for at,_,_ in pend: 
                        code[at]=len(code)  # may be wrong then
                    code.append(42); break
                continue
            for x in list(pend):
                if r.random()<.5:
                    j=joined((x[1],x[2]),(S,L))
                    if j: S,L=j; code[x[0]]=len(code); pend.remove(x)
            marks.append((len(code),list(S),list(L)))
            # jump back
            if r.random()<.06:
                c=[m for m in marks[:-1] if joined((m[1],m[2]),(S,L))==(m[1],m[2])]
                if c:
                    m=r.choice(c); 
                    if r.random()<.7: code+=[20,m[0]]; alive=False; continue
            ch=[]
            if len(S)<15:
                ch+=['push','push','nil','new','block']*(1 if len(S)<6 else 0)
                ch+=['load']*3 if nl else []
                if s.cons and len(S)<10: ch+=['chan']*2
            if S:
                t=S[-1]
                ch+=['store']*2 if nl else []
                ch+=['zero']*3 if t==INT else []
                ch+=['out'] if t==INT else []
                if t==INT: ch+=['row','rows']
                if len(S)>1: ch+=['swap']
                if not lin(t): ch+=['pop','dup'] 
                if len(S)>1 and t==INT and S[-2]==INT: ch+=['arith']*4
                if ptr(t): ch+=['none']
                if t[0]==1: ch+=['get','get','put','put']
                if t[0] in(2,3): ch+=['length','take','take','lay','lay']
                if t[0]==4: ch+=['see','set','see','set','free']
                if t[0]==5:
                    turn,ms=s.cons[t[1]][t[2]]
                    if turn==0: ch+=['close']*3
                    elif turn==t[3]+1: ch+=['send']*8
                    else: ch+=['recv']*8
            ch+=['call']*2+['spawn']*2+['yield']
            if r.random()<.02: ch=['exit']
            o=r.choice(ch); nxt=None
            if o=='push': code+=[0]+s.k(); S.append(INT)
            elif o=='nil': code.append(1); S.append(NIL)
            elif o=='new': x=r.randrange(len(s.recs)); code+=[22,x]; S.append((1,x))
            elif o=='block':
                x=r.choice(s.brecs); code+=[32,x]; S.append((4,x))
            elif o=='load':
                l=r.randrange(nl)
                if L[l]!=EMPTY:
                    code+=[2,l]; S.append(L[l])
                    if lin(L[l]): L[l]=EMPTY
            elif o=='store':
                l=r.randrange(nl)
                if not lin(L[l]): code+=[3,l]; L[l]=S.pop()
            elif o=='pop': code.append(4); S.pop()
            elif o=='dup': code.append(5); S.append(S[-1])
            elif o=='swap': code.append(6); S[-1],S[-2]=S[-2],S[-1]
            elif o=='arith': code.append(r.randint(7,18)); S.pop()
            elif o=='none': code.append(19); S[-1]=INT
            elif o=='zero':
                S.pop(); code+=[21,0]; pend.append((len(code)-1,list(S),list(L)))
            elif o=='out': code.append(43); S.pop()
            elif o=='row':
                if r.random()<.8: code+=[0,0,0,0,r.randint(0,12),25]; S.append((2,))
                else: code.append(25); S[-1]=(2,)
            elif o=='rows':
                x=r.randrange(len(s.recs))
                if r.random()<.8: code+=[0,0,0,0,r.randint(0,12),26,x]; S.append((3,x))
                else: code+=[26,x]; S[-1]=(3,x)
            elif o=='get':
                rec=s.recs[S[-1][1]]; f=r.randrange(len(rec))
                if r.random()<.5: code.append(5); code+=[23,f]; S.append(rec[f])
                else: code+=[23,f]; S[-1]=rec[f]
            elif o=='put':
                rec=s.recs[S[-1][1]]; f=r.randrange(len(rec))
                same=[l for l in range(nl) if fits(L[l],rec[f])]
                d=len(S)
                if r.random()<.5: code.append(5); S.append(S[-1])
                if same and r.random()<.7: code+=[2,r.choice(same)]; 
                else: s.val(rec[f],code,S); S.pop()
                code+=[24,f]; S.pop()
            elif o=='length': code.append(27); S[-1]=INT
            elif o=='take':
                t=S[-1]; code+=[0,0,0,0,r.randint(0,4),28]; S[-1]=INT if t[0]==2 else (1,t[1])
            elif o=='lay':
                t=S[-1]; it=INT if t[0]==2 else (1,t[1]); same=[l for l in range(nl) if fits(L[l],it)]
                if r.random()<.6: code.append(5); S.append(t)
                code+=[0,0,0,0,r.randint(0,4)]
                if same and r.random()<.7: code+=[2,r.choice(same)]
                else: s.val(it,code,S); S.pop()
                code.append(29); S.pop()
            elif o=='see':
                code+=[33,r.randrange(len(s.recs[S[-1][1]]))]; S.append(INT)
            elif o=='set':
                code+=[0]+s.k()+[34,r.randrange(len(s.recs[S[-1][1]]))]
            elif o=='free': code.append(35); S.pop()
            elif o=='chan':
                c=r.randrange(len(s.cons)); code+=[36,c]; S+=[(5,c,0,0),(5,c,0,1)]
            elif o=='close': code.append(39); S.pop()
            elif o=='send':
                t=S[-1]; turn,ms=s.cons[t[1]][t[2]]; x=r.randrange(len(ms)); ld,n=ms[x]
                if ld is None: code+=[37,x]; S[-1]=(5,t[1],n,t[3])
                elif ld[0]==5:
                    same=[l for l in range(nl) if L[l]==ld]
                    if len(S)>1 and S[-2]==ld: code+=[6,37,x]; S.pop(); S[-1]=(5,t[1],n,t[3])
                    elif same: l=r.choice(same); L[l]=EMPTY; code+=[2,l,37,x]; S[-1]=(5,t[1],n,t[3])
                else:
                    if s.val(ld,code,S): S.pop(); code+=[37,x]; S[-1]=(5,t[1],n,t[3])
            elif o=='recv':
                t=S.pop(); turn,ms=s.cons[t[1]][t[2]]; code+=[38,len(ms)]
                for ld,n in ms:
                    code.append(0); pend.append((len(code)-1,S+[(5,t[1],n,t[3])]+([] if ld is None else [ld]),list(L)))
                alive=False
            elif o in('call','spawn'):
                j=r.randrange(len(s.sigs)); p2,r2,_=s.sigs[j]
                if o=='spawn' and (r2 is not None or any(map(ptr,p2))): continue
                k=len(p2)
                if k<=len(S) and all(fits(a,b) for a,b in zip(S[len(S)-k:],p2)): pass
                elif all(p[0]!=5 or p in L for p in p2) and len(S)<8:
                    c2=list(code); S2=list(S); L2=list(L); ok=True
                    for p in p2:
                        if p[0]==5 or (p in L and r.random()<.7):
                            if p not in L2: ok=False; break
                            l=L2.index(p); c2+=[2,l]; S2.append(p)
                            if lin(p): L2[l]=EMPTY
                        else: s.val(p,c2,S2)
                    if not ok: continue
                    code=c2; S=S2; L=L2
                else: continue
                del S[len(S)-k:]
                code+=[30 if o=='call' else 40,j]
                if o=='call' and r2 is not None: S.append(r2)
            elif o=='yield': code.append(41)
            elif o=='exit': code.append(42); alive=False
        if not code: code=[31]
        return code[:240]
    def module(s,keep=False):
        if not keep: s.skeleton()
        return s.assemble([s.fn(i) for i in range(len(s.sigs))])
    def assemble(s,codes):
        b=[83,77,len(s.recs)]
        for rc in s.recs:
            b.append(len(rc))
            for t in rc: b+=tb(t)
        b.append(len(s.cons))
        for c in s.cons:
            b.append(len(c))
            for turn,ms in c:
                b+=[turn,len(ms)]
                for ld,n in ms: b+=tb(ld)+[n]
        b.append(len(s.sigs))
        for (ps,res,nl),c in zip(s.sigs,codes):
            b.append(len(ps))
            for t in ps: b+=tb(t)
            b+=tb(res)+[nl,len(c)]+c
        return b
