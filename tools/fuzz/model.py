"""A model of SealedProcesses, after DOC.md, that shares no code with the class, to compare answers with."""
NONE=-1
class Fault(Exception):
    def __init__(s,k,p): s.k=k; s.p=p
def s32(x):
    x&=0xffffffff
    return x-(1<<32) if x>>31 else x
OPS={0:'k',2:'l',3:'l',20:'T',21:'T',22:'r',23:'f',24:'f',26:'r',30:'F',32:'b',33:'f',34:'f',36:'c',37:'t',38:'R',40:'F'}
class Mod: pass
class Fn: pass
class Rd:
    def __init__(s,b): s.b=b; s.i=0
    def nxt(s,ok=None):
        if s.i>=len(s.b): raise Fault(1,len(s.b))
        v=s.b[s.i]
        if ok is not None and not ok(v): raise Fault(1,s.i)
        s.i+=1
        return v
def decode(b):
    r=Rd(b); names=[]  # (place,kind,args)
    def rng(a,c): return r.nxt(lambda v:a<=v<=c)
    def typ(allowed):
        k=r.nxt(lambda v:v in allowed)
        if k==255: return None
        if k in (0,2): return (k,)
        if k in (1,3):
            names.append((r.i,'rec')); return (k,r.nxt())
        if k==4:
            names.append((r.i,'brec')); return (k,r.nxt())
        pc=r.i; names.append((pc,'con')); c=r.nxt(); names.append((r.i,'state',c)); s=r.nxt(); d=rng(0,1)
        return (5,c,s,d)
    m=Mod(); m.b=list(b)
    rng(83,83); rng(77,77)
    m.recs=[]; m.cons=[]; m.fns=[]
    for _ in range(rng(0,8)):
        m.recs.append([typ((0,1,2,3)) for _ in range(rng(1,6))])
    for ci in range(rng(0,4)):
        states=[]
        for _ in range(rng(1,8)):
            turn=rng(0,2)
            n=rng(0,0) if turn==0 else rng(1,4)
            ms=[]
            for _ in range(n):
                ld=typ((0,4,5,255))
                names.append((r.i,'state',ci)); ms.append((ld,r.nxt()))
            states.append((turn,ms))
        m.cons.append(states)
    for _ in range(rng(1,10)):
        f=Fn(); np=rng(0,4)
        f.params=[typ((0,1,2,3,4,5)) for _ in range(np)]
        f.result=typ((0,1,2,3,4,5,255))
        f.locals=rng(np,10); f.len=rng(1,240); f.start=r.i
        end=f.start+f.len
        f.code={}
        def cb(ok=None):
            if r.i>=len(b): raise Fault(1,len(b))
            if r.i>=end: raise Fault(1,end)
            return r.nxt(ok)
        while r.i<end:
            at=r.i-f.start
            op=cb(lambda v:v<=43); k=OPS.get(op); a=None
            if k=='k':
                v=0
                for _ in range(4): v=v*256+cb()
                a=s32(v)
            elif k=='l': a=cb(lambda v:v<f.locals)
            elif k=='f': a=cb(lambda v:v<=5)
            elif k=='t': a=cb(lambda v:v<=3)
            elif k=='R':
                n=cb(lambda v:1<=v<=4); a=[]
                for _ in range(n):
                    names.append((r.i,'T',f)); a.append(cb())
            elif k=='T': names.append((r.i,'T',f)); a=cb()
            elif k=='r': names.append((r.i,'rec')); a=cb()
            elif k=='b': names.append((r.i,'brec')); a=cb()
            elif k=='c': names.append((r.i,'con')); a=cb()
            elif k=='F': names.append((r.i,'fn')); a=cb()
            f.code[at]=(op,a,r.i-f.start)
        m.fns.append(f)
    if r.i<len(b): raise Fault(1,r.i)
    for nm in names:
        v=b[nm[0]]; k=nm[1]
        bad = (k in('rec','brec') and v>=len(m.recs)) or (k=='brec' and any(t!=(0,) for t in m.recs[v])) or (k=='con' and v>=len(m.cons)) \
          or (k=='state' and v>=len(m.cons[nm[2]])) or (k=='fn' and v>=len(m.fns)) or (k=='T' and v not in nm[2].code)
        if bad: raise Fault(1,nm[0])
    for f in m.fns:
        if not right(m,f): raise Fault(2,f.start)
    return m
NIL=(6,); EMPTY=(7,); INT=(0,)
class Wrong(Exception): pass
def lin(t): return t[0] in (4,5)
def ptr(t): return t[0] in (1,2,3)
def fits(v,t): return v==t or (v==NIL and ptr(t))
def W(c):
    if not c: raise Wrong()
def right(m,f):
    try:
        f.st={}
        work=[]
        def come(at,stk,loc):
            W(at in f.code); W(len(stk)<=16)
            if at not in f.st:
                f.st[at]=(tuple(stk),tuple(loc)); work.append(at); return
            os,ol=f.st[at]
            W(len(os)==len(stk))
            ns=[]
            for x,y in zip(os,stk):
                if x==y: ns.append(x)
                elif x==NIL and ptr(y): ns.append(y)
                elif y==NIL and ptr(x): ns.append(x)
                else: raise Wrong()
            nl=[]
            for x,y in zip(ol,loc):
                if x==y: nl.append(x)
                elif x==NIL and ptr(y): nl.append(y)
                elif y==NIL and ptr(x): nl.append(x)
                else:
                    W(not lin(x) and not lin(y)); nl.append(EMPTY)
            if (tuple(ns),tuple(nl))!=f.st[at]:
                f.st[at]=(tuple(ns),tuple(nl)); work.append(at)
        come(0,[],list(f.params)+[EMPTY]*(f.locals-len(f.params)))
        while work:
            at=work.pop()
            stk,loc=map(list,f.st[at])
            for tgt,s2,l2 in flow(m,f,at,stk,loc): come(tgt,s2,l2)
        return True
    except Wrong: return False
def flow(m,f,at,s,l):
    op,a,nx=f.code[at]
    def pop():
        W(s); return s.pop()
    def popi(): W(pop()==INT)
    nxt=lambda:[(nx,s,l)]
    if op==0: s.append(INT)
    elif op==1: s.append(NIL)
    elif op==2:
        W(l[a]!=EMPTY); s.append(l[a])
        if lin(l[a]): l[a]=EMPTY
    elif op==3:
        W(not lin(l[a])); l[a]=pop()
    elif op==4: W(not lin(pop()))
    elif op==5:
        t=pop(); W(not lin(t)); s+=[t,t]
    elif op==6:
        x=pop(); y=pop(); s+=[x,y]
    elif 7<=op<=18: popi(); popi(); s.append(INT)
    elif op==19:
        t=pop(); W(ptr(t) or t==NIL); s.append(INT)
    elif op==20: return [(a,s,l)]
    elif op==21: popi(); return [(a,s,l),(nx,s,l)]
    elif op==22: s.append((1,a))
    elif op==23:
        t=pop()
        if t==NIL: return []
        W(t[0]==1 and a<len(m.recs[t[1]])); s.append(m.recs[t[1]][a])
    elif op==24:
        v=pop(); t=pop()
        if t==NIL: return []
        W(t[0]==1 and a<len(m.recs[t[1]])); W(fits(v,m.recs[t[1]][a]))
    elif op==25: popi(); s.append((2,))
    elif op==26: popi(); s.append((3,a))
    elif op==27:
        t=pop()
        if t==NIL: return []
        W(t[0] in (2,3)); s.append(INT)
    elif op==28:
        popi(); t=pop()
        if t==NIL: return []
        W(t[0] in (2,3)); s.append(INT if t[0]==2 else (1,t[1]))
    elif op==29:
        v=pop(); popi(); t=pop()
        if t==NIL: return []
        W(t[0] in (2,3)); W(fits(v,INT if t[0]==2 else (1,t[1])))
    elif op==30:
        g=m.fns[a]
        for p in reversed(g.params): W(fits(pop(),p))
        if g.result is not None: s.append(g.result)
    elif op==31:
        if f.result is None: W(not s)
        else: W(len(s)==1 and fits(s[0],f.result))
        W(not any(map(lin,l))); return []
    elif op==32: s.append((4,a))
    elif op==33: W(s and s[-1][0]==4 and a<len(m.recs[s[-1][1]])); s.append(INT)
    elif op==34: popi(); W(s and s[-1][0]==4 and a<len(m.recs[s[-1][1]]))
    elif op==35: W(pop()[0]==4)
    elif op==36: s+=[(5,a,0,0),(5,a,0,1)]
    elif op==37:
        t=pop()
        def myturn(t): return t[0]==5 and m.cons[t[1]][t[2]][0]==t[3]+1 and a<len(m.cons[t[1]][t[2]][1])
        if myturn(t) and m.cons[t[1]][t[2]][1][a][0] is None: e=t; ld=None
        else: ld=t; e=pop()
        W(myturn(e)); msg=m.cons[e[1]][e[2]][1][a]
        W(msg[0]==ld); s.append((5,e[1],msg[1],e[3]))
    elif op==38:
        e=pop(); W(e[0]==5); turn,ms=m.cons[e[1]][e[2]]
        W(turn==2-e[3]); W(len(ms)==len(a))
        return [(T,s+[(5,e[1],n,e[3])]+([] if ld is None else [ld]),l) for T,(ld,n) in zip(a,ms)]
    elif op==39:
        e=pop(); W(e[0]==5 and m.cons[e[1]][e[2]][0]==0)
    elif op==40:
        g=m.fns[a]; W(g.result is None and not any(map(ptr,g.params)))
        for p in reversed(g.params): W(fits(pop(),p))
    elif op==41: pass
    elif op==42: return []
    elif op==43: popi()
    return nxt()

def alike(ma,ca,mb,cb):
    seen=set()
    def go(x,y):
        if (x,y) in seen: return True
        seen.add((x,y))
        A=ma.cons[x];B=mb.cons[y]
        if len(A)!=len(B): return False
        for (t1,m1),(t2,m2) in zip(A,B):
            if t1!=t2 or len(m1)!=len(m2): return False
            for (l1,n1),(l2,n2) in zip(m1,m2):
                if n1!=n2: return False
                if (l1 is None)!=(l2 is None): return False
                if l1 is None: continue
                if l1[0]!=l2[0]: return False
                if l1[0]==4 and len(ma.recs[l1[1]])!=len(mb.recs[l2[1]]): return False
                if l1[0]==5:
                    if l1[2:]!=l2[2:]: return False
                    if not go(l1[1],l2[1]): return False
        return True
    return go(ca,cb)

class Obj:  # node or row
    def __init__(s,kind,items): s.kind=kind; s.items=items
class Block: pass
class Chan: pass
class End:
    def __init__(s,ch,side): s.ch=ch; s.side=side; s.state=0; s.q=[]; s.open=True; s.owner=None
    def other(s): return s.ch.ends[1-s.side]
class Trap(Exception): pass
class Over(Exception): pass
class Proc: pass
class Act:
    def __init__(s,f,args): s.f=f; s.pc=0; s.s=[]; s.l=list(args)+[None]*(f.locals-len(args))
# values: int ; ('p',Obj or None) ; Block ; End ; None = EMPTY
class Model:
    def __init__(s):
        s.tape=[]; s.shelf=[None]*6; s.flt=NONE; s.flp=NONE; s.booted=False
        s.procs=[None]*12; s.chans=[None]*12; s.blocks=[None]*128; s.outs=[]
    def feed(s,*a):
        if len(s.tape)+20>2000: return NONE
        for x in a:
            for sh in (24,16,8,0): s.tape.append((x>>sh)&255)
        return len(s.tape)
    def load(s,n):
        if n<0 or n>len(s.tape): return -2
        b=s.tape[:n]; s.tape=[]
        try: m=decode(b)
        except Fault as e: s.flt=e.k; s.flp=e.p; return NONE
        s.flt=0; s.flp=NONE
        for i in range(6):
            if s.shelf[i] is None: s.shelf[i]=m; return i
        return NONE
    def fault(s,w): return s.flt if w==0 else s.flp if w==1 else NONE
    def discard(s,m):
        if not 0<=m<6 or s.shelf[m] is None: return 0
        s.shelf[m]=None; return 1
    def module(s,m,f,w):
        if not 0<=m<6 or s.shelf[m] is None: return NONE
        M=s.shelf[m]
        if w in (0,1,2,3): return [len(M.recs),len(M.cons),len(M.fns),len(M.b)][w]
        if not 0<=f<len(M.fns): return NONE
        F=M.fns[f]
        return {10:len(F.params),11:F.locals,12:F.len,13:F.start,14:max(len(x[0]) for x in F.st.values())}.get(w,NONE)
    def typeAt(s,m,f,pl,w,i):
        if not 0<=m<6 or s.shelf[m] is None: return NONE
        M=s.shelf[m]
        if not 0<=f<len(M.fns): return NONE
        F=M.fns[f]
        if pl not in F.st or w not in (0,1): return NONE
        x=F.st[pl][w]
        return x[i][0] if 0<=i<len(x) else NONE
    def boot(s,n):
        if n<0 or n>len(s.tape): return -2
        b=s.tape[:n]; s.tape=[]
        try: ps=s.manifest(b)
        except Fault as e: s.flt=e.k; s.flp=e.p; return NONE
        s.flt=0; s.flp=NONE
        s.booted=True; s.procs=[None]*12; s.chans=[None]*12; s.blocks=[None]*128; s.outs=[]
        s.steps=0; s.cur=0; s.tn=0
        nums={}
        for pi,(M,mp,fi,S,args) in enumerate(ps):
            vals=[]
            for t,a in zip(M.fns[fi].params,args):
                if t==INT: vals.append(a)
                else:
                    if a not in nums: nums[a]=s.newchan(M,t[1],pi)
                    e=nums[a].ends[t[3]]; e.owner=pi; vals.append(e)
            s.procs[pi]=s.newproc(pi,M,mp,M.fns[fi],16*S,vals)
        return len(ps)
    def manifest(s,b):
        r=Rd(b)
        def rng(a,c): return r.nxt(lambda v:a<=v<=c)
        rng(83,83); rng(70,70); out=[]; uses={}
        for _ in range(rng(1,6)):
            m=r.nxt()
            if m>5 or s.shelf[m] is None: raise Fault(3,r.i-1)
            M=s.shelf[m]; f=r.nxt()
            if f>=len(M.fns): raise Fault(4,r.i-1)
            F=M.fns[f]
            if F.result is not None: raise Fault(4,r.i-1)
            for t in F.params:
                if not(t==INT or (t[0]==5 and t[2]==0)): raise Fault(4,r.i-1)
            S=rng(1,64); args=[]
            for t in F.params:
                if t==INT:
                    v=0
                    for _ in range(4): v=v*256+r.nxt()
                    args.append(s32(v))
                else:
                    at=r.i; k=rng(0,7); u=uses.setdefault(k,[])
                    if len(u)==2: raise Fault(5,at)
                    if len(u)==1:
                        M2,t2=u[0]
                        if t2[3]==t[3] or not alike(M2,t2[1],M,t[1]): raise Fault(5,at)
                    u.append((M,t)); args.append(k)
            out.append((M,m,f,S,args))
        if r.i<len(b): raise Fault(1,r.i)
        if any(len(u)==1 for u in uses.values()): raise Fault(6,len(b))
        return out
    def newproc(s,pi,M,mp,F,heap,vals):
        p=Proc(); p.n=pi; p.M=M; p.mp=mp; p.heap=heap; p.st=1; p.trap=0; p.steps=0; p.acts=[Act(F,vals)]
        return p
    def newchan(s,M,c,owner):
        for i in range(12):
            if s.chans[i] is None:
                ch=Chan(); ch.n=i; ch.con=M.cons[c]; ch.ends=[End(ch,0),End(ch,1)]
                for e in ch.ends: e.owner=owner
                s.chans[i]=ch; return ch
        return None
    def reach(s,p):
        seen=set(); todo=[]; tot=0
        for a in p.acts:
            for v in a.s+a.l:
                if isinstance(v,tuple) and v[1] is not None: todo.append(v[1])
        while todo:
            o=todo.pop()
            if id(o) in seen: continue
            seen.add(id(o)); tot+=1+len(o.items)
            for v in o.items:
                if isinstance(v,tuple) and v[1] is not None: todo.append(v[1])
        return tot
    def sender(s,p,t):
        a=p.acts[-1]; x=a.s[-1]
        if isinstance(x,End):
            turn,ms=x.ch.con[x.state]
            if turn==x.side+1 and t<len(ms) and ms[t][0] is None: return x,False
        return a.s[-2],True
    def looks(s,p):
        a=p.acts[-1]; op,arg,nx=a.f.code[a.pc]
        if op==38: return 1 if a.s[-1].q else 2
        if op==37:
            e,_=s.sender(p,arg); o=e.other()
            return 3 if o.open and len(o.q)>=4 else 1
        return 1
    def still(s): return all(p is None or p.st>=4 or s.looks(p)!=1 for p in s.procs)
    def run(s,n):
        if not 0<=n<=10000 or not s.booted: return NONE
        done=0; idle=0
        while done<n:
            p=s.procs[s.cur]
            if p is None or p.st>=4:
                idle+=1; s.cur=(s.cur+1)%12; s.tn=0
                if idle>=24: break
                continue
            k=s.looks(p); p.st=k
            if k!=1:
                idle+=1; s.cur=(s.cur+1)%12; s.tn=0
                if idle>=24: break
                continue
            idle=0
            op=s.step(p); done+=1; s.tn+=1
            if p.st>=4 or op==41 or s.tn==8: s.cur=(s.cur+1)%12; s.tn=0
        return done
    def step(s,p):
        a=p.acts[-1]; op=a.f.code[a.pc][0]
        s.steps+=1; p.steps+=1
        try: s.do(p)
        except Trap as t: p.st=5; p.trap=t.args[0]
        except Over: p.st=4
        if p.st>=4:
            for i in range(128):
                if s.blocks[i] and s.blocks[i].owner==p.n: s.blocks[i]=None
            for ch in list(s.chans):
                if ch:
                    for e in ch.ends:
                        if e.open and e.owner==p.n: s.close(e)
        return op
    def close(s,e):
        if not e.open: return
        e.open=False; q=e.q; e.q=[]
        for t,ld in q: s.drop(ld)
        if not e.other().open: s.chans[e.ch.n]=None
    def drop(s,ld):
        if isinstance(ld,Block): s.blocks[ld.n]=None
        elif isinstance(ld,End): s.close(ld)
    def do(s,p):
        a=p.acts[-1]; op,arg,nx=a.f.code[a.pc]; a.pc=nx; S=a.s; L=a.l; M=p.M
        def alloc(o):
            if s.reach(p)+1+len(o.items)>p.heap: raise Trap(5)
            S.append(('p',o))
        if op==0: S.append(arg)
        elif op==1: S.append(('p',None))
        elif op==2:
            v=L[arg]; S.append(v)
            if isinstance(v,(Block,End)): L[arg]=None
        elif op==3: L[arg]=S.pop()
        elif op==4: S.pop()
        elif op==5: S.append(S[-1])
        elif op==6: S[-1],S[-2]=S[-2],S[-1]
        elif 7<=op<=18:
            y=S.pop(); x=S.pop()
            if op in(10,11):
                if y==0: raise Trap(3)
                q=abs(x)//abs(y)
                if (x<0)!=(y<0): q=-q
                v=q if op==10 else x-q*y
            else:
                v={7:lambda:x+y,8:lambda:x-y,9:lambda:x*y,12:lambda:x&y,13:lambda:x|y,14:lambda:x^y,15:lambda:x<<(y&31),16:lambda:x>>(y&31),17:lambda:int(x<y),18:lambda:int(x==y)}[op]()
            S.append(s32(v))
        elif op==19: S.append(int(S.pop()[1] is None))
        elif op==20: a.pc=arg
        elif op==21:
            if S.pop()==0: a.pc=arg
        elif op==22: alloc(Obj('n',[0 if t==INT else ('p',None) for t in M.recs[arg]]))
        elif op==23:
            o=S.pop()[1]
            if o is None: raise Trap(1)
            S.append(o.items[arg])
        elif op==24:
            v=S.pop(); o=S.pop()[1]
            if o is None: raise Trap(1)
            o.items[arg]=v
        elif op in (25,26):
            n=S.pop()
            if n<0: raise Trap(4)
            if n>2000: raise Trap(5)
            alloc(Obj('r',[0 if op==25 else ('p',None)]*n))
        elif op==27:
            o=S.pop()[1]
            if o is None: raise Trap(1)
            S.append(len(o.items))
        elif op==28:
            i=S.pop(); o=S.pop()[1]
            if o is None: raise Trap(1)
            if not 0<=i<len(o.items): raise Trap(2)
            S.append(o.items[i])
        elif op==29:
            v=S.pop(); i=S.pop(); o=S.pop()[1]
            if o is None: raise Trap(1)
            if not 0<=i<len(o.items): raise Trap(2)
            o.items[i]=v
        elif op==30:
            g=M.fns[arg]; k=len(g.params)
            if len(p.acts)>=16: raise Trap(9)
            args=S[len(S)-k:]; del S[len(S)-k:]
            p.acts.append(Act(g,args))
        elif op==31:
            if len(p.acts)==1: raise Over()
            v=S[-1:] ; p.acts.pop(); p.acts[-1].s+=v
        elif op==32:
            n=len(M.recs[arg])
            if sum(1+len(b.f) for b in s.blocks if b)+n+1>256: raise Trap(6)
            i=s.blocks.index(None); b=Block(); b.n=i; b.f=[0]*n; b.owner=p.n; s.blocks[i]=b; S.append(b)
        elif op==33: S.append(S[-1].f[arg])
        elif op==34: v=S.pop(); S[-1].f[arg]=v
        elif op==35: b=S.pop(); s.blocks[b.n]=None
        elif op==36:
            ch=s.newchan(M,arg,p.n)
            if ch is None: raise Trap(7)
            S+=ch.ends
        elif op==37:
            e,has=s.sender(p,arg); ld=S.pop() if has else None
            e.state=e.ch.con[e.state][1][arg][1]
            o=e.other()
            if not o.open: s.drop(ld)
            else:
                o.q.append((arg,ld))
                if isinstance(ld,(Block,End)): ld.owner=100+2*o.ch.n+o.side
        elif op==38:
            e=S[-1]; t,ld=e.q.pop(0); e.state=e.ch.con[e.state][1][t][1]
            if ld is not None:
                S.append(ld)
                if isinstance(ld,(Block,End)): ld.owner=p.n
            a.pc=arg[t]
        elif op==39: s.close(S.pop())
        elif op==40:
            g=M.fns[arg]; k=len(g.params)
            for i in range(12):
                if s.procs[i] is None or s.procs[i].st>=4: break
            else: raise Trap(8)
            args=S[len(S)-k:]; del S[len(S)-k:]
            s.procs[i]=s.newproc(i,M,p.mp,g,p.heap,args)
            for x in args:
                if isinstance(x,(Block,End)): x.owner=i
        elif op==41: pass
        elif op==42: raise Over()
        elif op==43:
            v=S.pop()
            if len(s.outs)>=500: raise Trap(10)
            s.outs.append((p.n,v))
    def about(s,w):
        if not s.booted: return NONE
        bl=[b for b in s.blocks if b]
        return {0:lambda:s.steps,1:lambda:int(s.still()),2:lambda:sum(1 for p in s.procs if p and p.st<4),3:lambda:sum(1 for c in s.chans if c),4:lambda:len(bl),5:lambda:sum(1+len(b.f) for b in bl),6:lambda:len(s.outs)}.get(w,lambda:NONE)()
    def process(s,p,w):
        if not 0<=p<12 or s.procs[p] is None: return NONE
        P=s.procs[p]; over=P.st>=4; a=P.acts[-1]
        if w==0: return P.st
        if w==1: return P.trap
        if w==2: return P.mp
        if 3<=w<=7:
            if over: return 0
            return [P.M.fns.index(a.f),a.pc,len(P.acts),len(a.s),s.reach(P)][w-3]
        if w==8: return P.heap
        if w==9: return P.steps
        return NONE
    def value(s,p,w,i):
        MV=-2**31
        if not 0<=p<12 or s.procs[p] is None or s.procs[p].st>=4 or w not in(0,1): return MV
        a=s.procs[p].acts[-1]; x=a.s if w==0 else a.l
        if not 0<=i<len(x): return MV
        v=x[i]
        if v is None: return 0
        if isinstance(v,int): return v
        if isinstance(v,tuple): return int(v[1] is not None)
        if isinstance(v,Block): return v.n
        return 2*v.ch.n+v.side
    def block(s,b,w):
        if not 0<=b<128 or s.blocks[b] is None: return NONE
        B=s.blocks[b]
        if w==0: return len(B.f)
        if w==1: return B.owner
        return B.f[w-10] if 10<=w<10+len(B.f) else NONE
    def channel(s,c,d,w):
        if not 0<=c<12 or s.chans[c] is None or d not in(0,1) or not s.chans[c].ends[d].open: return NONE
        e=s.chans[c].ends[d]
        return {0:e.state,1:e.owner,2:len(e.q)}.get(w,NONE)
    def output(s,i,w):
        if not 0<=i<len(s.outs) or w not in(0,1): return NONE
        return s.outs[i][w]
