"""Plays random sessions on the model and on the class, and tells where their answers differ.

    python3 fuzz.py SEED COUNT               compare COUNT sessions, from SEED on
    python3 fuzz.py SEED COUNT record N FILE compare, and write N of them with the model's answers:
                                             those that differ most in what happens in them

Each session is made from its seed alone. The class is compiled from ../../src/main/java.
"""
import os,random,subprocess,sys,tempfile
from model import *; from gen import *
from collections import Counter
here=os.path.dirname(os.path.abspath(__file__))
seed0=int(sys.argv[1]); count=int(sys.argv[2])
stat=Counter()
lines=[];want=[];info=[]
def session(seed):
    r=random.Random(seed); M=Model(); calls=0
    def c(name,*a):
        nonlocal calls
        calls+=1
        if name=='new': v=0
        else: v=getattr(M,name)(*a)
        if calls<=513: # what an object answers behind its 512th call is free
            lines.append(' '.join([name]+[str(x) for x in a])); want.append(v); info.append(seed)
        return v
    c('new')
    def feedb(b):
        b=b[:2000]
        for i in range(0,len(b),20):
            ch=(b[i:i+20]+[0]*20)[:20]
            c('feed',*[s32(ch[j]<<24|ch[j+1]<<16|ch[j+2]<<8|ch[j+3]) for j in range(0,20,4)])
        return len(b)
    def small(): return r.choice([0,0,1,1,2,3,4,5,6,7,8,9,10,11,12,13,14,15,20,-1,-5,240,2**31-1,-2**31])
    gens=[]
    rounds=r.randint(1,4)
    while calls<420:
        # load modules
        for _ in range(r.randint(1,3)):
            if gens and r.random()<.3:
                g=r.choice(gens); b=g.module(keep=True)
                if len(b)>1900: continue
            else:
                g=Gen(r); b=g.module()
                for _ in range(30):
                    if len(b)<=700: break
                    g=Gen(r); b=g.module()
            q=r.random()
            if q<.35:
                for _ in range(r.choice([1,1,1,2,3])):
                    if not b: break
                    i=r.randrange(len(b)); 
                    k=r.random()
                    if k<.6: b[i]=r.choice([0,1,2,3,4,5,6,7,8,255,r.randint(0,43),r.randint(0,255),(b[i]+1)%256,(b[i]-1)%256])
                    elif k<.75: del b[i]
                    elif k<.9: b.insert(i,r.choice([r.randint(0,43),r.randint(0,255)]))
                    else: b=b[:i] or [83]
            n=feedb(b)
            x=r.random()
            if x<.04: c('load',r.choice([-1,n+100,2**31-1,-2**31]))
            nn=n if r.random()<.95 else max(0,min(len(M.tape),n+r.choice([-1,1,2,-3])))
            v=c('load',nn); stat['load%d'%(-1 if v<0 else 1)]+=1
            f0=c('fault',0); c('fault',1); stat['loadfault%d'%f0]+=1
            if r.random()<.1: c('fault',small())
            if v>=0:
                while len(gens)<=v: gens.append(None)
                gens[v]=g
                gens2=[x for x in gens if x]
                mm=M.shelf[v]
                for fi,F in enumerate(mm.fns):
                    if r.random()<.5: c('module',v,fi,r.choice([10,11,12,13,14,14]))
                    for _ in range(r.randint(0,5)):
                        pl=r.choice(sorted(F.code)) if r.random()<.9 else small()
                        c('typeAt',v,fi,pl,r.choice([0,1,1,0,2 if r.random()<.1 else 1]),r.choice([0,0,1,2,3,r.randint(-1,12)]))
            if r.random()<.2: c('module',small(),small(),small())
            if r.random()<.1: c('typeAt',small(),small(),small(),small(),small())
        gens=[x for x in gens if x]
        if r.random()<.15: c('discard',small())
        # boot
        mods=[(i,m) for i,m in enumerate(M.shelf) if m]
        for _ in range(r.randint(1,3)):
            if not mods: break
            ok=r.random()<.85
            P=r.randint(1,6); b=[83,70]; procs=[]; ends=[]
            cand=[(i,m,fi,f) for i,m in mods for fi,f in enumerate(m.fns) if f.result is None and all(t==INT or (t[0]==5 and t[2]==0) for t in f.params)]
            if not ok or not cand: cand=cand+[(i,m,fi,f) for i,m in mods for fi,f in enumerate(m.fns)]
            body=[]; openends=[]; nextn=0; cnt=0
            # pick procs, try to pair ends
            for _ in range(P):
                i,m,fi,f=r.choice(cand)
                ent=[i,fi,r.choice([1,1,2,3,64,r.randint(1,64)])]
                for t in f.params:
                    if t==INT:
                        ent+=Gen(r).k()
                    elif t[0]==5:
                        mt=[x for x in openends if x[1][3]!=t[3] and alike(x[2],x[1][1],m,t[1])]
                        if mt and r.random()<.97:
                            x=r.choice(mt); openends.remove(x); ent.append(x[0])
                        elif openends and r.random()<.05: ent.append(r.choice(openends)[0])
                        else: openends.append((nextn,t,m)); ent.append(nextn); nextn+=1
                body+=ent; cnt+=1
            # try to close open ends by extra processes
            for x in list(openends):
                if cnt>=6: break
                part=[(i,m,fi,f) for i,m,fi,f in cand if [t for t in f.params if t!=INT and t[0]==5] and len([t for t in f.params if t!=INT])==1 and alike(x[2],x[1][1],m,[t for t in f.params if t[0]==5][0][1]) and [t for t in f.params if t[0]==5][0][3]!=x[1][3]] if ok else []
                if part:
                    i,m,fi,f=r.choice(part); ent=[i,fi,r.randint(1,4)]
                    for t in f.params: ent+=Gen(r).k() if t==INT else [x[0]]
                    body+=ent; cnt+=1
            b+=[cnt]+body
            if r.random()<.12:
                i=r.randrange(len(b)); k=r.random()
                if k<.6: b[i]=r.choice([0,1,2,3,4,5,6,7,8,65,r.randint(0,255)])
                elif k<.8: b=b[:i]
                else: b.insert(i,r.randint(0,8))
            n=feedb(b)
            if n>len(M.tape): continue
            if r.random()<.04: c('boot',r.choice([-1,n+100]))
            v=c('boot',n); f0=c('fault',0); c('fault',1); stat['bootfault%d'%f0]+=1
            if v<=0 and r.random()<.7 : continue
            if r.random()<.2: c('discard',r.randint(0,5))
            for _ in range(r.randint(1,8)):
                nr=r.choice([0,1,1,2,3,5,8,r.randint(1,30),r.randint(1,200),r.randint(1,200),2000 if r.random()<.3 else 50])
                if r.random()<.02: nr=r.choice([-1,10001])
                c('run',nr)
                for w in range(7):
                    if r.random()<.4: c('about',w)
                for p in range(12):
                    if r.random()<.25 and M.procs[p]:
                        for w in range(10):
                            if r.random()<.5: c('process',p,w)
                        for _ in range(r.randint(0,4)): c('value',p,r.randint(0,1),r.choice([0,0,1,2,3,r.randint(-1,10)]))
                for _ in range(r.randint(0,3)): c('block',r.choice([0,0,1,2,3,r.randint(-1,130)]),r.choice([0,1,1,1,10,11,12,small()]))
                for _ in range(r.randint(0,4)): c('channel',r.choice([0,0,1,2,3,r.randint(-1,13)]),r.choice([0,1,0,1,small()]),r.choice([0,1,2,0,1,2,small()]))
                for _ in range(r.randint(0,3)): c('output',r.choice([0,1,2,len(M.outs)-1,small()]),r.choice([0,1,1,small()]))
                if r.random()<.1: c('process',small(),small()); c('value',small(),small(),small()); c('about',small())
            for p in M.procs:
                if p: stat['st%d'%p.st]+=1; stat['trap%d'%p.trap]+=1
            stat['chans']+=sum(1 for x in M.chans if x); stat['blocks']+=sum(1 for x in M.blocks if x)
            stat['waitblocks']+=sum(1 for x in M.blocks if x and x.owner>=100); stat['waitends']+=sum(1 for x in M.chans if x for e in x.ends if e.open and e.owner>=100)
            stat['discardedruns']+=sum(1 for p in M.procs if p and M.shelf[p.mp] is not p.M); stat['emptyjoin']+=sum(1 for p in M.procs if p and p.st<4 and p.acts[-1].pc in p.acts[-1].f.st and any(t==EMPTY and v is not None for t,v in zip(p.acts[-1].f.st[p.acts[-1].pc][1],p.acts[-1].l)))
            stat['mixedq']+=sum(1 for x in M.chans if x for e in x.ends if len(set(type(l) for t,l in e.q))>1); stat['halfclosed']+=sum(1 for x in M.chans if x and not(x.ends[0].open and x.ends[1].open))
            stat['deep']+=sum(1 for p in M.procs if p and p.st<4 and len(p.acts)>4); stat['q']+=sum(len(e.q) for x in M.chans if x for e in x.ends)
sessions=[]
total=Counter()
for s in range(seed0,seed0+count):
    start=len(lines); stat.clear()
    session(s)
    sessions.append((start,len(lines),set(k for k,v in stat.items() if v))); total.update(stat)
classes=tempfile.mkdtemp()
subprocess.run(['javac','-d',classes,os.path.join(here,'../../src/main/java/SealedProcesses.java'),os.path.join(here,'Driver.java')],check=True)
out=subprocess.run(['java','-cp',classes,'Driver'],input='\n'.join(lines)+'\n',capture_output=True,text=True)
if out.stderr: print(out.stderr[:2000])
got=out.stdout.split()
bad=0
for i,(l,w) in enumerate(zip(lines,want)):
    g=int(got[i]) if i<len(got) else None
    if g!=w:
        bad+=1
        if bad<=10: print('seed',info[i],'line',i,l,'got',g,'want',w)
print('calls',len(lines),'bad',bad,dict(sorted(total.items())))
if len(sys.argv)>5 and sys.argv[3]=='record':
    covered=Counter(); chosen=[]
    for _ in range(int(sys.argv[4])):
        best=max((x for x in sessions if x not in chosen),key=lambda x:sum(1/(1+covered[k])**2 for k in x[2]))
        chosen.append(best); covered.update(best[2])
    with open(sys.argv[5],'w') as f:
        for start,end,_ in sorted(chosen,key=lambda x:x[0]):
            for l,w in zip(lines[start:end],want[start:end]): f.write(l+' = '+str(w)+'\n')
    print('recorded',dict(sorted(covered.items())))
sys.exit(1 if bad else 0)
