theorem lwr_36 : (tb_315[36]?.map (fun ch => ch.2.all lwRow)) = some true := by decide +kernel
theorem lwr_37 : (tb_315[37]?.map (fun ch => ch.2.all lwRow)) = some true := by decide +kernel
theorem lwr_38 : (tb_315[38]?.map (fun ch => ch.2.all lwRow)) = some true := by decide +kernel
theorem lwr_39 : (tb_315[39]?.map (fun ch => ch.2.all lwRow)) = some true := by decide +kernel
theorem lwr_40 : (tb_315[40]?.map (fun ch => ch.2.all lwRow)) = some true := by decide +kernel
theorem lwr_41 : (tb_315[41]?.map (fun ch => ch.2.all lwRow)) = some true := by decide +kernel
theorem lwr_42 : (tb_315[42]?.map (fun ch => ch.2.all lwRow)) = some true := by decide +kernel
theorem lwr_43 : (tb_315[43]?.map (fun ch => ch.2.all lwRow)) = some true := by decide +kernel
