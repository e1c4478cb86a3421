/-! ===== the whole library: arrays of arrays (Stand.multianewarray2F) lie outside the short one ===== -/
def mm_wide := @Jvm.Free.Multi.fill
