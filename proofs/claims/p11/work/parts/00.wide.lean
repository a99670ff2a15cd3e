theorem wd_use {s U : State} (h : s.vm.Alike U.vm) (o : (Cond.arrayOver (.array .int)).before #[] s = true) : (Cond.arrayOver (.array .int)).before #[] U = true := arrayOver_alikeB h o
