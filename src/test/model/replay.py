# Prints the runs of a file again, each call with the answer that model.py gives now: python3 replay.py FILE
import sys
from model import *
for line in open(sys.argv[1]):
    line=line.rstrip('\n')
    if line=='new': m=M(); print(line); continue
    name,*a=line.split(' = ')[0].split()
    print('%s = %d'%(line.split(' = ')[0],m.call(name,[int(x) for x in a])))
