section ZWide
/-- stands first: its proof's name lies in the whole library, so that a round reads it from the first part on -/
theorem zwide {u U : State} (hvm : u.vm.Alike U.vm) (h : (Cond.arrayOver (.array .int)).before #[] u = true) : (Cond.arrayOver (.array .int)).before #[] U = true := Jvm.Stand.arrayOver_alikeB hvm h
end ZWide
