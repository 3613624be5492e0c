# Prints random runs of calls with the answers of model.py: python3 gen.py SEED RUNS [LIVELY]
# LIVELY hundredths of the runs begin with a law by which many loans are late or fail, and an order of many steps.
import random,sys
from model import *
R=random.Random(int(sys.argv[1])); runs=int(sys.argv[2])
lively=int(sys.argv[3]) if len(sys.argv)>3 else 0
def expr(d):
    c=R.random()
    if d==0 or c<.3:
        return str(R.choice([0,1,2,5,10,20,50,100,200,300,999,9999,R.randint(0,9999)])) if R.random()<.6 else R.choice(['month','rate','left','owed','balance','kind'])
    if c<.4: return '('+expr(d-1)+')'
    if c<.47: return R.choice(['not ','- '])+expr(d-1)
    return expr(d-1)+R.choice([' + ','-','*',' < ','=',' and ',' or '])+expr(d-1)
def messy(s):
    # change a byte now and then
    b=bytearray(s.encode())
    while R.random()<.3 and b:
        i=R.randrange(len(b)); c=R.random()
        if c<.3: del b[i]
        elif c<.6: b[i]=R.choice(b'abz09;()+-*<= \nA!\xff')
        else: b.insert(i,R.choice(b'abz09;()+-*<= \n'))
    return bytes(b)
def textsrc():
    c=R.random()
    if c<.5: return messy('fail %s; late %s;early %s;'%(expr(R.choice([0,0,1,2])),expr(R.choice([0,1])),expr(R.choice([0,1])))) if R.random()<.5 else ('fail %d*%s;late %d;early %d + month;'%(R.randint(0,60),R.choice(['1','(kind=2)','(rate<50)']),R.randint(0,400),R.randint(0,60))).encode()
    return messy('fail %s ; late %s ; early %s ;'%(expr(3),expr(2),expr(3)))
def ordersrc():
    st=[]
    for _ in range(R.choice([0,1,2,3,4,5,6,7,8,9,10])):
        k=R.choice(['fee','pay','own','part','keep','pay','own','part'])
        p=R.choice('abcabcde')
        x={'fee':'fee %d'%R.choice([1,5,10,50]),'pay':'pay '+p,'own':'own '+p,'part':'part %s %d'%(p,R.choice([5,20,50,100,150])),'keep':'keep %d'%R.choice([100,500,5000,9999])}[k]
        if R.random()<.35:
            f=R.choice(['month','late','lost','cover','trip'])
            x+=' if '+R.choice(['','not '])+f+R.choice(['<',' = '])+str(R.choice({'month':[3,6,9,13],'late':[0,1,2,3],'lost':[0,10,50,200],'cover':[90,100,110,150,9999],'trip':[0,1]}[f]))
        st.append(x)
    st.append('rest')
    s=R.choice([';','; ']).join(st)
    return messy(s) if R.random()<.3 else s.encode()
out=[]
made=[0]
def do(m,name,*a):
    # an object is used for at most 512 calls
    if made[0]==512: return
    made[0]+=1
    r=m.call(name,a)
    out.append('%s %s = %d'%(name,' '.join(map(str,a)),r))
    return r
def I(lo,hi):
    c=R.random()
    if c<.03: return lo-1
    if c<.06: return hi+1
    if c<.08: return R.choice([-2147483648,2147483647,-7])
    return R.randint(lo,hi)
def sI(): return R.choice([0,1,2,3,4,5,6,-1])
for _ in range(runs):
    m=M(); out.append('new'); made[0]=0
    def feed(b):
        for i in range(0,len(b),8):
            c=b[i:i+8]; do(m,'feed',len(c),int.from_bytes(c.ljust(8,R.choice([b'\0',b'x'])),'little',signed=True))
    for _ in range(R.choice([1,2,3,5,12,14])): do(m,'loan',I(0,5),I(1000,R.choice([2000,20000,999999])),I(0,200),I(1,R.choice([3,12,20,30,60])))
    for _ in range(R.choice([0,1,2,3,5,6])): do(m,'paper',I(1,R.choice([1000,50000,9999999])),I(0,200))
    tot=m.pool()
    if R.random()<.5 and m.papers==[] and tot>10:
        for _ in range(3): do(m,'paper',max(1,tot//R.choice([2,3,4])),I(0,100))
    if R.random()<.7: do(m,'tell',0,R.randint(0,99999))
    if R.random()<.5: do(m,'tell',2,1)
    if R.randrange(100)<lively:
        while len(m.loans)<4: do(m,'loan',R.randint(0,5),R.randint(1000,99999),R.randint(1,200),R.randint(6,40))
        while len(m.papers)<3: do(m,'paper',max(1,m.pool()//R.randint(2,6)),R.randint(0,150))
        feed(('fail %d;late %d+50*kind;early %d;'%(R.choice([0,10,60]),R.choice([100,300,600]),R.choice([0,20]))).encode())
        do(m,'text'); do(m,'force',1); do(m,'tell',2,1); do(m,'trip',R.choice([0,10,100]),R.randint(1,4))
        feed(R.choice([b'fee 5;pay a;pay b;part a 60 if trip=0;own a if not trip=0;keep 500 if late<2;pay c;own b if cover<120;rest',
            b'keep 900;pay a;pay b;pay c if lost<50;own a if month<9;part b 50;own c if not late<3;rest']))
        do(m,'order'); do(m,'amend',1,1); do(m,'run',R.randint(2,12))
    calls=R.choice([30,100,300])
    for _ in range(calls):
        c=R.random()
        if c<.05 : feed(textsrc()); do(m,'text')
        elif c<.1: feed(ordersrc()); do(m,'order')
        elif c<.14: do(m,'force',I(0,max(0,len(m.texts)-1)))
        elif c<.18: do(m,'amend',I(1,m.mo+1),I(0,max(0,len(m.orders)-1)))
        elif c<.26: do(m,'run',R.choice([1,1,1,2,3,6,12,0,13]))
        elif c<.30: do(m,'tell',I(0,2),R.choice([0,1,50,100,99999,R.randint(0,99999)]))
        elif c<.32: do(m,'trip',I(0,R.choice([5,100,1000])),I(1,12))
        elif c<.36: do(m,'buy',I(0,max(0,len(m.loans)-1)))
        elif c<.45: do(m,'loanTold',I(0,max(0,len(m.loans)-1)),I(0,6))
        elif c<.53: do(m,'paperTold',I(0,max(0,len(m.papers)-1)),I(0,5))
        elif c<.57: do(m,'life',I(0,max(0,len(m.papers)-1)),I(0,1))
        elif c<.60: do(m,'says',I(0,max(0,len(m.loans)-1)),I(0,2))
        elif c<.63: do(m,'step',I(0,max(0,len(m.orders)-1)),I(-1,9),I(0,5))
        elif c<.72: do(m,'month',I(1,max(1,m.mo)),I(0,11))
        elif c<.78: do(m,'paid',I(1,max(1,m.mo)),I(0,10))
        elif c<.81: do(m,'beside',I(1,12),I(0,99999),I(0,2+len(m.papers)))
        elif c<.87: do(m,'count',I(0,11))
        elif c<.89: do(m,'sheet',I(0,3),I(-1,2),I(0,40))
        elif c<.92:
            v=R.choice([R.randint(-2**31,2**31-1),R.randint(0,70000),0,m.hist[-1]['took'][0] if m.mo else 1])
            do(m,'cell',I(0,3),I(0,R.choice([5,39])),v)
        elif c<.95:
            sh=I(0,3); so=m.sheets[sh][0] if 0<=sh<=3 and m.sheets[sh] and R.random()<.9 else I(0,2)
            if m.mo and 0<=sh<=3 and m.sheets[sh] and R.random()<.7:
                k=R.randint(1,m.mo); b=R.choice([0,0,3])
                for i,t in enumerate(m.hist[k]['took']): do(m,'cell',sh,b+i,t+(R.random()<.03))
                do(m,'report',k,sh,so,b,I(0,10))
            else: do(m,'report',I(1,max(1,m.mo)),sh,so,I(0,R.choice([2,39])),I(0,10))
        elif c<.975:
            sh=I(0,3); so=m.sheets[sh][0] if 0<=sh<=3 and m.sheets[sh] and R.random()<.9 else I(0,2)
            if 0<=sh<=3 and m.sheets[sh] and R.random()<.6:
                for q in range(R.randint(1,4)):
                    for i,v in enumerate((R.randint(0,5),R.randint(900,40000),R.randint(0,201),R.randint(0,20))): do(m,'cell',sh,4*q+i,v)
            do(m,'loans',sh,so,R.choice([0,0,1,4,I(0,39)]),I(0,10))
        else: do(m,'taken',I(0,max(0,len(m.loans)-1)),I(0,5))
    for l in range(len(m.loans)):
        for w in range(7): do(m,'loanTold',l,w)
    for p in range(len(m.papers)):
        for w in range(6): do(m,'paperTold',p,w)
        do(m,'life',p,0);do(m,'life',p,1)
    for k in range(1,m.mo+1):
        for w in range(12): do(m,'month',k,w)
        for i in range(10): do(m,'paid',k,i)
    for w in range(12): do(m,'count',w)
print('\n'.join(out))
