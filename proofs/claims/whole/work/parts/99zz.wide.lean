def zz_wide := @Jvm.Free.Multi.outerC
