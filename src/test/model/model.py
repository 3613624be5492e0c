# A second, plain LayerBook, written from the document alone; gen.py records runs of it.
import copy
from fractions import Fraction
NO=-4611686018427387904
NONE,BAD,STATE,FULL=-1,-2,-3,-4
PARENT={0:None,1:0,2:1,3:0,4:2,5:3}
def isa(k,t):
    while k is not None:
        if k==t: return True
        k=PARENT[k]
    return False
def w32(x):
    x&=0xffffffff
    return x-(1<<32) if x>>31 else x
class Fault(Exception):
    def __init__(s,p): s.p=p
def tokens(b):
    i=0;out=[]
    n=len(b)
    while i<n:
        c=b[i]
        if c in(32,10): i+=1; continue
        ch=chr(c)
        if 'a'<=ch<='z':
            j=i
            while j<n and 97<=b[j]<=122: j+=1
            out.append((i,'w',b[i:j].decode())); i=j
        elif '0'<=ch<='9':
            j=i
            while j<n and 48<=b[j]<=57: j+=1
            if j-i>4: out.append((i,'x',None))
            else: out.append((i,'n',int(b[i:j])))
            i=j
        elif ch in '();+-*<=' : out.append((i,'s',ch)); i+=1
        else: out.append((i,'x',None)); i+=1
    out.append((n,'e',None))
    return out
class P:
    def __init__(s,b): s.t=tokens(b); s.i=0; s.open=0
    def cur(s): return s.t[s.i]
    def isw(s,w): return s.cur()[1:]==('w',w)
    def iss(s,w): return s.cur()[1:]==('s',w)
    def bad(s): raise Fault(s.cur()[0])
    def needw(s,w):
        if not s.isw(w): s.bad()
        s.i+=1
    def needs(s,w):
        if not s.iss(w): s.bad()
        s.i+=1
    def push(s):
        if s.open==5: s.bad()
        s.open+=1; s.i+=1
    def text(s):
        r=[]
        for k in('fail','late','early'):
            s.needw(k); r.append(s.E()); s.needs(';')
        if s.cur()[1]!='e': s.bad()
        return r
    def E(s):
        x=s.AND()
        while s.isw('or'): s.i+=1; x=('or',x,s.AND())
        return x
    def AND(s):
        x=s.NOT()
        while s.isw('and'): s.i+=1; x=('and',x,s.NOT())
        return x
    def NOT(s):
        if s.isw('not'):
            s.push(); x=s.NOT(); s.open-=1; return('not',x)
        x=s.SUM()
        for o in '<=':
            if s.iss(o):
                s.i+=1; return(o,x,s.SUM())
        return x
    def SUM(s):
        x=s.TERM()
        while s.iss('+') or s.iss('-'):
            o=s.cur()[2]; s.i+=1; x=(o,x,s.TERM())
        return x
    def TERM(s):
        x=s.ONE()
        while s.iss('*'): s.i+=1; x=('*',x,s.ONE())
        return x
    def ONE(s):
        p,k,v=s.cur()
        if k=='n': s.i+=1; return('n',v)
        if k=='w' and v in('month','rate','left','owed','balance','kind'): s.i+=1; return('v',v)
        if s.iss('-'): s.push(); x=s.ONE(); s.open-=1; return('neg',x)
        if s.iss('('):
            s.push(); x=s.E(); s.needs(')'); s.open-=1; return x
        s.bad()
    def num(s):
        if s.cur()[1]!='n': s.bad()
        v=s.cur()[2]; s.i+=1; return v
    def pick(s,ws):
        if s.cur()[1]!='w' or s.cur()[2] not in ws: s.bad()
        v=ws.index(s.cur()[2]); s.i+=1; return v
    def order(s):
        st=[]
        while True:
            if s.isw('rest'):
                s.i+=1
                if s.cur()[1]!='e': s.bad()
                st.append([5,-1,-1,0,-1,-1]); return st
            if len(st)==9: s.bad()
            k=s.pick(['fee','pay','own','part','keep'])
            pa=s.pick(list('abcde')) if k in(1,2,3) else -1
            nu=s.num() if k in(0,3,4) else -1
            t,f,b=0,-1,-1
            if s.isw('if'):
                s.i+=1
                neg=False
                if s.isw('not'): neg=True; s.i+=1
                f=s.pick(['month','late','lost','cover','trip'])
                if s.iss('<'): t=1
                elif s.iss('='): t=2
                else: s.bad()
                s.i+=1
                b=s.num()
                if neg: t+=2
            st.append([k,pa,nu,t,f,b])
            s.needs(';')
def ev(x,L,k):
    o=x[0]
    if o=='n': return x[1]
    if o=='v': return w32({'month':k,'rate':L['rate'],'left':L['months']+1-k,'owed':L['owed'],'balance':L['bal'],'kind':L['kind']}[x[1]])
    a=ev(x[1],L,k)
    if o=='neg': return w32(-a)
    if o=='not': return int(a==0)
    b=ev(x[2],L,k)
    if o=='or': return int(a!=0 or b!=0)
    if o=='and': return int(a!=0 and b!=0)
    if o=='<': return int(a<b)
    if o=='=': return int(a==b)
    return w32({'+':a+b,'-':a-b,'*':a*b}[o])
def leaves(bal,rate,m,pay):
    for _ in range(m):
        i=bal*rate//10000
        bal-=min(bal,max(0,pay-i))
    return bal
def findpay(bal,rate,m):
    if bal==0: return 0
    # linear walk from a good guess, to stay independent of a search
    lo=1; 
    p=max(0,bal//m-2)
    while leaves(bal,rate,m,p)!=0: p+= 1 if (bal*rate//10000+bal//m)*1.0-p<5000 else 50
    while p>0 and leaves(bal,rate,m,p-1)==0: p-=1
    return p
class M:
    def __init__(s):
        s.loans=[];s.papers=[];s.texts=[P(b'fail 0 ; late 0 ; early 0 ;').text()];s.orders=[P(b'rest').order()]
        s.mo=0;s.seed=0;s.backp=50;s.adv=0;s.bound=1000;s.cure=1;s.law=0;s.tape=b'';s.ord=[0]*62;s.hist=[None]
        s.advanced=0;s.sheets=[None]*4
        s.reset()
    def reset(s):
        s.reserve=0;s.trip=False;s.quiet=0;s.loss=0;s.restall=0
        for p in s.papers: p.update(bal=p['b0'],short=0,int=0,pri=0,wd=0,w=0)
    def loan(s,k,b,r,m):
        if not(0<=k<=5 and 1000<=b<=999999 and 0<=r<=200 and 1<=m<=60): return BAD
        if s.mo: return STATE
        if len(s.loans)==12: return FULL
        s.loans.append(dict(kind=k,bal=b,rate=r,months=m,owed=0,st=0,pay=0,f=0)); return len(s.loans)-1
    def loanTold(s,l,w):
        if not(0<=l<len(s.loans) and 0<=w<=6): return BAD
        return [s.loans[l][x] for x in('kind','bal','rate','months','owed','st','pay')][w]
    def paper(s,b,c):
        if not(1<=b<=9999999 and 0<=c<=200): return BAD
        if s.mo: return STATE
        if len(s.papers)==5: return FULL
        s.papers.append(dict(b0=b,bal=b,c=c,short=0,int=0,pri=0,wd=0,w=0)); return len(s.papers)-1
    def paperTold(s,p,w):
        if not(0<=p<len(s.papers) and 0<=w<=5): return BAD
        return [s.papers[p][x] for x in('bal','c','short','int','pri','wd')][w]
    def life(s,p,w):
        if not(0<=p<len(s.papers) and 0<=w<=1): return NO
        p=s.papers[p]
        f=Fraction(p['w'],p['pri']) if p['pri'] else Fraction(0,1)
        return f.numerator if w==0 else f.denominator
    def tell(s,w,v):
        if w==0 and 0<=v<=99999: r=s.seed; s.seed=v; return r
        if w==1 and 0<=v<=100: r=s.backp; s.backp=v; return r
        if w==2 and 0<=v<=1: r=s.adv; s.adv=v; return r
        return BAD
    def trip_(s,b,c):
        if not(0<=b<=1000 and 1<=c<=12): return BAD
        s.bound=b;s.cure=c;return 1
    def feed(s,n,v):
        if not 1<=n<=8: return BAD
        if len(s.tape)+n>160: return FULL
        s.tape+=(v&(2**64-1)).to_bytes(8,'little')[:n]; return len(s.tape)
    def text(s):
        if len(s.texts)==6: return FULL
        t=s.tape;s.tape=b''
        try: s.texts.append(P(t).text()); return len(s.texts)-1
        except Fault as f: return -100-f.p
    def order(s):
        if len(s.orders)==6: return FULL
        t=s.tape;s.tape=b''
        try: s.orders.append(P(t).order()); return len(s.orders)-1
        except Fault as f: return -100-f.p
    def force(s,t):
        if not 0<=t<len(s.texts): return BAD
        r=s.law;s.law=t;return r
    def says(s,l,p):
        if not(0<=l<len(s.loans) and 0<=p<=2) or s.mo==60: return NO
        return ev(s.texts[s.law][p],s.loans[l],s.mo+1)
    def step(s,o,i,w):
        if not 0<=o<len(s.orders): return BAD
        if not(-1<=i<len(s.orders[o]) and 0<=w<=5): return BAD
        return len(s.orders[o]) if i==-1 else s.orders[o][i][w]
    def amend(s,m,o):
        if not 0<=o<len(s.orders) or not 1<=m<=s.mo+1: return BAD
        for k in range(m,62): s.ord[k]=o
        s.reset()
        for k in range(1,s.mo+1): s.pour(k,s.hist[k])
        return s.mo
    def pool(s): return sum(l['bal'] for l in s.loans if l['st'] in(0,1,3))
    def collect(s,k):
        H=dict(I=0,P=0,B=0,A=0,L=0); H['p0']=s.pool()
        for n,l in enumerate(s.loans):
            if k==1 and isa(l['kind'],1): l['pay']=findpay(l['bal'],l['rate'],l['months'])
            if k==13 and isa(l['kind'],2) and l['st']<2:
                l['rate']=min(200,2*l['rate'])
                l['pay']=findpay(l['bal'],l['rate'],l['months']+1-k)
            if l['st']==6:
                H['I']+=l['owed'];H['P']+=l['bal'];l['owed']=l['bal']=0
            if l['st']==3 and l['f']+3==k:
                b=l['bal']*s.backp//100; H['B']+=b;H['L']+=l['bal']-b;l['bal']=0;l['st']=4
            if l['st'] not in(0,1): continue
            f,la,e=[min(1000,max(0,ev(x,l,k))) for x in s.texts[s.law]]
            x=((s.seed+7919*n+104729*k)*48271%2147483647)%1000
            i=l['bal']*l['rate']//10000
            last=k==l['months']
            hol=l['kind']==4 and k%6==0 and not last
            left=l['months']+1-k
            if x<f: l['st']=3;l['f']=k;l['owed']=0;continue
            if x<f+la and not hol:
                l['owed']+=i;l['st']=1
                if last: l['months']+=1
                if s.adv: H['A']+=i
                continue
            if f+la<=x<f+la+e:
                H['I']+=i+l['owed'];H['P']+=l['bal'];l['bal']=l['owed']=0;l['st']=5 if last else 2;continue
            H['I']+=l['owed'];l['owed']=0
            l['st']=5 if last else 0
            if hol: l['bal']+=i;continue
            K=l['kind']
            if last: p=l['bal']
            elif K in(1,2,4): p=min(l['bal'],max(0,l['pay']-i))
            elif K==0 or(K==5 and 3*k>2*l['months']): p=-(-l['bal']//left)
            else: p=0
            H['I']+=i;H['P']+=p;l['bal']-=p
        s.advanced+=H['A']
        H['R']=min(s.advanced,H['I'])
        s.advanced-=H['R']
        H['p1']=s.pool();H['late']=sum(l['st']==1 for l in s.loans)
        return H
    def pour(s,k,H):
        if k==1: s.first=H['p0']
        s.loss+=H['L']
        lost=s.loss*1000//s.first if s.first else 0
        s.quiet=0 if H['L'] else s.quiet+1
        if not s.trip: s.trip=bool(H['L'] and lost>s.bound)
        elif s.quiet>=s.cure: s.trip=False
        cash=H['I']+H['P']+H['B']+H['A']-H['R']+s.reserve
        s.reserve=0
        H['cash']=cash;H['trip']=int(s.trip)
        due=[p['bal']*p['c']//10000+p['short'] for p in s.papers]
        H['took']=[]
        for so,pa,nu,t,f,b in s.orders[s.ord[k]]:
            ok=True
            if t:
                a=s.papers[0]['bal'] if s.papers else 0
                cover=min(9999,100*H['p1']//a) if a else 9999
                v=[k,H['late'],lost,cover,int(s.trip)][f]
                ok=(v<b if t in(1,3) else v==b)
                if t>2: ok=not ok
            if not ok: H['took'].append(0);continue
            p=s.papers[pa] if 0<=pa<len(s.papers) else None
            want=0
            if so==0: want=H['p0']*nu//10000
            elif so==4: want=max(0,nu-s.reserve)
            elif so==5: want=cash
            elif p:
                if so==1: want=due[pa]
                elif so==2: want=p['bal']
                else: want=min(p['bal'],H['P']*nu//100)
            g=min(want,cash);cash-=g;H['took'].append(g)
            if so==4: s.reserve+=g
            elif so==5: s.restall+=g
            elif p and so==1: due[pa]-=g;p['int']+=g
            elif p and so in(2,3): p['bal']-=g;p['pri']+=g;p['w']+=g*k
        for i,p in enumerate(s.papers): p['short']=due[i]
        over=sum(p['bal'] for p in s.papers)-H['p1']-s.reserve
        for p in reversed(s.papers):
            if over>0:
                d=min(over,p['bal']);p['bal']-=d;p['wd']+=d;over-=d
        H['res']=s.reserve
    def run(s,n):
        if not 1<=n<=12: return BAD
        if s.mo+n>60: return FULL
        for _ in range(n):
            s.mo+=1;H=s.collect(s.mo);s.hist.append(H);s.pour(s.mo,H)
        return s.mo
    def month(s,k,w):
        if not(1<=k<=s.mo and 0<=w<=11): return BAD
        H=s.hist[k]
        return [H['I'],H['P'],H['B'],H['A'],H['R'],H['cash'],H['p1'],H['L'],H['late'],H['res'],H['trip'],s.ord[k]][w]
    def paid(s,k,i):
        if not 1<=k<=s.mo: return BAD
        t=s.hist[k]['took']
        return t[i] if 0<=i<len(t) else NONE
    def buy(s,l):
        if not 0<=l<len(s.loans): return BAD
        l=s.loans[l]
        if l['st'] not in(0,1): return STATE
        l['st']=6
        return l['bal']+l['owed']
    def chk(s,sh,so,n):
        if not 0<=sh<=3 or not 0<=so<=2 or not 0<=n<=10: return BAD
        if s.sheets[sh] is None: return -11
        if s.sheets[sh][0]!=so: return -13
        return 0
    def report(s,k,sh,so,fr,n):
        if not 1<=k<=s.mo: return BAD
        c=s.chk(sh,so,n)
        if c: return c
        r=s.sheets[sh][1];t=s.hist[k]['took']
        if any(not 0<=fr+i<len(r) for i in range(n)): return -12
        for i in range(n):
            if r[fr+i]!=(t[i] if i<len(t) else 0): return i
        return NONE
    def beside(s,n,seed,w):
        if not(1<=n<=12 and 0<=seed<=99999 and 0<=w<=2+len(s.papers)) or s.mo+n>60: return NO
        c=copy.deepcopy(s)
        c.seed=seed
        g=[p['int']+p['pri'] for p in c.papers]
        c.run(n)
        if w<3: return sum(H[('L','P','I')[w]] for H in c.hist[s.mo+1:])
        return c.papers[w-3]['int']+c.papers[w-3]['pri']-g[w-3]
    def count(s,w):
        if not 0<=w<=11: return BAD
        return [len(s.loans),len(s.papers),len(s.texts),len(s.orders),len(s.tape),s.mo,s.law,s.pool(),s.reserve,s.advanced,int(s.trip),s.restall][w]
    def sheet(s,sh,so,n):
        if not 0<=sh<=3 or not -1<=so<=2: return BAD
        if so==-1: s.sheets[sh]=None; return 1
        if n>40: return BAD
        if n<0: return -14
        s.sheets[sh]=(so,[0]*n); return 1
    def cell(s,sh,i,v):
        if not 0<=sh<=3: return BAD
        if s.sheets[sh] is None: return -11
        so,r=s.sheets[sh]
        if not 0<=i<len(r): return -12
        b=[8,16,32][so]; v&=(1<<b)-1
        r[i]=v-(1<<b) if v>>(b-1) else v
        return 1
    def loans_(s,sh,so,fr,n):
        c=s.chk(sh,so,n)
        if c: return c
        r=s.sheets[sh][1];g=0
        for i in range(n):
            a=fr+4*i
            if a<0 or a+3>=len(r): return -12
            if s.loan(*r[a:a+4])>=0: g+=1
        return g
    def taken(s,l,k):
        if not 0<=k<=5: return BAD
        if not 0<=l<len(s.loans): return -11
        return s.loans[l]['bal'] if isa(s.loans[l]['kind'],k) else -13
    def call(s,name,a):
        name={'trip':'trip_','loans':'loans_'}.get(name,name)
        return getattr(s,name)(*a)
