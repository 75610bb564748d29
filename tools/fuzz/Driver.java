import java.io.*; import java.util.*;
public class Driver {
  public static void main(String[] z) throws Exception {
    BufferedReader r=new BufferedReader(new InputStreamReader(System.in)); String l; SealedProcesses x=null; StringBuilder o=new StringBuilder();
    while((l=r.readLine())!=null){ String[] p=l.split(" "); int[] a=new int[p.length-1]; for(int i=0;i<a.length;i++)a[i]=Integer.parseInt(p[i+1]); int v=0;
      switch(p[0]){ case "new": x=new SealedProcesses(); break; case "feed": v=x.feed(a[0],a[1],a[2],a[3],a[4]); break; case "load": v=x.load(a[0]); break; case "fault": v=x.fault(a[0]); break;
      case "discard": v=x.discard(a[0])?1:0; break; case "module": v=x.module(a[0],a[1],a[2]); break; case "typeAt": v=x.typeAt(a[0],a[1],a[2],a[3],a[4]); break; case "boot": v=x.boot(a[0]); break;
      case "run": v=x.run(a[0]); break; case "about": v=x.about(a[0]); break; case "process": v=x.process(a[0],a[1]); break; case "value": v=x.value(a[0],a[1],a[2]); break; case "block": v=x.block(a[0],a[1]); break;
      case "channel": v=x.channel(a[0],a[1],a[2]); break; case "output": v=x.output(a[0],a[1]); break; default: throw new RuntimeException(l);} o.append(v).append('\n'); }
    System.out.print(o); } }
